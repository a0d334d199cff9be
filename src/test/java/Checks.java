/** Counts what a test has checked, and prints every answer that is not the one that is due. */
final class Checks {
    interface Call {
        long answer();
    }

    private int passed;
    private int failed;

    void same(String what, long got, long due) {
        note(got == due, what + " answered " + got + ", due is " + due);
    }

    void same(String what, String got, String due) {
        note(got.equals(due), what + " answered " + got + ", due is " + due);
    }

    void holds(String what, boolean fact) {
        note(fact, what);
    }

    /** The call has to throw just this exception, and the hall has to be afterwards as it was before. */
    void refused(String what, Class<? extends RuntimeException> due, TarockHall hall, Call call) {
        String before = Answers.ofState(hall);
        same(what, Answers.of(call), "throws." + due.getSimpleName());
        same(what + ", the state behind it", Answers.ofState(hall), before);
    }

    void outside(String what, TarockHall hall, Call call) {
        refused(what, IndexOutOfBoundsException.class, hall, call);
    }

    void badArgument(String what, TarockHall hall, Call call) {
        refused(what, IllegalArgumentException.class, hall, call);
    }

    void badState(String what, TarockHall hall, Call call) {
        refused(what, IllegalStateException.class, hall, call);
    }

    void end(String name) {
        System.out.println(name + ": " + passed + " checks as due, " + failed + " not");
        if (failed > 0 || passed == 0) {
            System.exit(1);
        }
    }

    private void note(boolean asDue, String what) {
        if (asDue) {
            passed++;
            return;
        }
        failed++;
        if (failed <= 50) {
            System.out.println("WRONG: " + what);
        }
    }
}
