/** Counts the answers that are not as due, and tells them. */
final class Due {
    private int wrong = 0;
    private int looked = 0;

    void is(String call, long due, long got) {
        looked++;
        if (got != due) {
            tell(call + " answered " + got + ", due is " + due);
        }
    }

    void same(String call, String due, String got) {
        looked++;
        if (!got.equals(due)) {
            tell(call + " gave\n  " + got + "\ndue is\n  " + due);
        }
    }

    void holds(String what, boolean does) {
        looked++;
        if (!does) {
            tell(what + " does not hold");
        }
    }

    private void tell(String text) {
        wrong++;
        if (wrong <= 50) {
            System.out.println(text);
        }
    }

    int wrongs() {
        return wrong;
    }

    void end() {
        System.out.println(looked + " looked at, " + wrong + " not as due");
        if (wrong != 0) {
            System.exit(1);
        }
    }
}
