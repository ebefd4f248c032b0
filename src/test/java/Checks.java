import java.util.Objects;

/** Counts and prints the answers that are not as due. */
final class Checks {

    interface Call {
        void run();
    }

    private String name;
    private int checked = 0;
    private int wrong = 0;

    Checks(String name) {
        this.name = name;
    }

    void rename(String newName) {
        name = newName;
    }

    void same(String what, Object got, Object due) {
        checked++;
        if (!Objects.equals(got, due)) {
            wrong++;
            System.out.println(name + ": " + what + " is " + got + ", due is " + due);
        }
    }

    /** That the call throws this very exception, not one of a class below it. */
    void thrown(String what, Class<?> due, Call call) {
        Object got = "nothing";
        try {
            call.run();
        } catch (RuntimeException e) {
            got = e.getClass();
        }
        same(what + " throws", got, due);
    }

    /** That the call throws this very exception, and that the digest is the same behind it. */
    void refused(OutboxRelay relay, String what, Class<?> due, Call call) {
        long before = relay.digest();
        thrown(what, due, call);
        same(what + " leaves the digest", relay.digest(), before);
    }

    int wrong() {
        return wrong;
    }

    void close() {
        System.out.println(name + ": " + checked + " checks, " + wrong + " wrong");
        if (wrong != 0) {
            System.exit(1);
        }
    }
}
