import java.util.Objects;

/** Compares answers with those that are due, and tells which are not. */
final class Check {
    interface Call {
        Object run();
    }

    private int wrong = 0;
    private String topic = "";

    /** A new object with an item of each of these categories. */
    static Hall hallWith(String categories) {
        Hall hall = new Hall();
        for (char category : categories.toCharArray()) {
            hall.addItem(category);
        }
        return hall;
    }

    /** What the next checks are about, told ahead of each answer that is not due. */
    void about(String newTopic) {
        topic = newTopic;
    }

    void same(String what, Object got, Object due) {
        if (!Objects.equals(got, due)) {
            wrong++;
            System.out.println(topic + what + " answered " + got + ", due is " + due);
        }
    }

    /** The call has to throw just this exception, and to leave all that the object tells as it was. */
    void refuses(String what, Hall hall, Class<? extends RuntimeException> due, Call call) {
        String before = Snapshot.of(hall);
        same(what, outcome(call), due.getSimpleName());
        same("what stands after " + what, Snapshot.of(hall), before);
    }

    /** The value that a call returned, or the name of the exception that it threw. */
    static Object outcome(Call call) {
        try {
            return call.run();
        } catch (RuntimeException e) {
            return e.getClass().getSimpleName();
        }
    }

    void end(String name) {
        if (wrong > 0) {
            System.out.println(name + ": " + wrong + " answers are not as due");
            System.exit(1);
        }
    }
}
