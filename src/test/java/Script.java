import java.lang.reflect.InvocationTargetException;
import java.lang.reflect.Method;
import java.util.ArrayList;
import java.util.HashMap;
import java.util.List;
import java.util.Map;
import java.util.Set;

/**
 * A run of calls told as texts, on an object of its own, each call with the answer that is due:
 *
 * <pre>
 *   tell B00J01      wipe, write these letters, net (which must take them)
 *   type J01         write these letters
 *   step() = 0       a call and its answer; "shut(4|MAX) = UNKNOWN" is one call for each number
 *   step() x14       a call 14 times
 * </pre>
 *
 * Several stand in one text with "; " between them, and behind "# " it may say why. Behind each call that is
 * refused, or that only looks, all that can be seen of the object must be as if the call had not been made; and a look
 * must answer as if no other had been taken ahead of it.
 */
final class Script {
    private static final int MOST_CALLS = 512;
    private static final Map<String, Integer> NAMES = Map.of("UNKNOWN", -1, "OUTSIDE", -2, "STATE", -3, "FULL", -4,
        "NONE", -9, "MIN", Integer.MIN_VALUE, "MAX", Integer.MAX_VALUE);
    private static final Set<String> LOOKS = Set.of("fault", "joint", "pipe", "walker", "ahead", "comes", "way", "mend",
        "watch", "judge", "turning", "share", "rests", "flood", "count");
    private static final Set<String> NEVER_REFUSED = Set.of("wipe", "step", "unhear", "seed");
    private static final Map<String, Method> FACE = new HashMap<>();

    static {
        for (Method m : ManholeBirths.class.getMethods()) FACE.put(m.getName(), m);
    }

    /** A call with its numbers; the text is as it was told. */
    private record Call(String text, Method method, Object[] numbers) {
        long on(ManholeBirths x) {
            try {
                return ((Number) method.invoke(x, numbers)).longValue();
            } catch (IllegalAccessException | InvocationTargetException e) {
                throw new IllegalStateException(text + " threw", e);
            }
        }

        String name() {
            return method.getName();
        }
    }

    static int asked = 0, wrong = 0;

    private final String words;
    private final ManholeBirths x = new ManholeBirths();
    private final List<Call> made = new ArrayList<>();
    /** The calls that may have changed something: with these alone the object must be as it is. */
    private final List<Call> changing = new ArrayList<>();
    private List<Long> seen = null;

    Script(String words) {
        this.words = words;
    }

    void run(String... lines) {
        for (String line : lines) {
            int comment = line.indexOf(" # ");
            String why = comment < 0 ? "" : line.substring(comment + 3);
            if (why.contains(") = ")) fail("a call stands behind a comment", why);
            for (String told : (comment < 0 ? line : line.substring(0, comment)).split("; ")) doOne(told, why);
        }
        if (made.size() > MOST_CALLS) fail("the run has " + made.size() + " calls", "");
    }

    private void doOne(String told, String why) {
        if (told.startsWith("tell ")) {
            make("wipe()");
            doOne("type " + told.substring(5), why);
            if (make("net()") < 0) fail("net() did not take " + told, why);
        } else if (told.startsWith("type ")) {
            for (char c : told.substring(5).toCharArray()) make("write(" + (int) c + ")");
        } else {
            String[] sides = told.split(" = ");
            String[] counted = sides[0].split(" x");
            int times = counted.length > 1 ? Integer.parseInt(counted[1]) : 1;
            for (int i = 0; i < times; i++) {
                for (String call : eachOf(counted[0])) ask(call, sides.length > 1 ? sides[1] : null, why);
            }
        }
    }

    /** "a(1|2, 3)" is a(1, 3) and a(2, 3). */
    private static List<String> eachOf(String call) {
        int bar = call.indexOf('|');
        if (bar < 0) return List.of(call);
        int begin = Math.max(call.lastIndexOf('(', bar), call.lastIndexOf(' ', bar)) + 1;
        int end = bar;
        while (call.charAt(end) != ',' && call.charAt(end) != ')') end++;
        List<String> found = new ArrayList<>();
        for (String number : call.substring(begin, end).split("\\|")) {
            found.addAll(eachOf(call.substring(0, begin) + number + call.substring(end)));
        }
        return found;
    }

    private void ask(String call, String due, String why) {
        long got = make(call);
        if (due == null) return;
        asked++;
        long want = NAMES.containsKey(due) ? NAMES.get(due) : Long.parseLong(due);
        if (got != want) fail(call + " answered " + got + ", due is " + due, why);
    }

    private long make(String text) {
        Call call = parsed(text);
        long got = call.on(x);
        made.add(call);
        boolean refused = got <= -1 && got >= -4 && !NEVER_REFUSED.contains(call.name());
        if (refused || LOOKS.contains(call.name())) {
            // An answer hangs on what was done, not on what was looked at ahead of it.
            long alone = call.on(with(null));
            if (alone != got) fail(text + " answered " + got + ", but " + alone + " if none had looked ahead of it", "");
            mustBeAsIf(call, null);
        } else {
            // Years may change the seed, and nothing else.
            if (call.name().equals("years")) mustBeAsIf(call, parsed("seed(" + seedBehind(call) + ")"));
            changing.add(call);
            seen = null;
        }
        return got;
    }

    private static Call parsed(String text) {
        Method method = FACE.get(text.substring(0, text.indexOf('(')));
        String inside = text.substring(text.indexOf('(') + 1, text.indexOf(')'));
        String[] told = inside.isEmpty() ? new String[0] : inside.split(", ");
        Object[] numbers = new Object[told.length];
        for (int i = 0; i < told.length; i++) numbers[i] = number(told[i], method.getParameterTypes()[i]);
        return new Call(text, method, numbers);
    }

    private static Object number(String told, Class<?> type) {
        if (type == boolean.class) return Boolean.valueOf(told);
        if (type == long.class) return Long.valueOf(told);
        return NAMES.containsKey(told) ? NAMES.get(told) : Integer.valueOf(told);
    }

    private void fail(String what, String why) {
        wrong++;
        List<String> calls = new ArrayList<>();
        for (Call call : made) calls.add(call.text);
        System.out.println(words + "\n  " + what + (why.isEmpty() ? "" : " (" + why + ")") + "\n  in " + String.join(" ", calls));
    }

    // ---- what can be seen of an object

    private long seedBehind(Call call) {
        return parsed("seed(0)").on(with(call));
    }

    private void mustBeAsIf(Call call, Call instead) {
        if (seen == null || instead != null) seen = picture(instead);
        List<Long> then = picture(call);
        asked++;
        if (!then.equals(seen)) fail(call.text + " has changed what it may not: " + seen + " became " + then, "");
    }

    /** A new object with which the changing calls were made, and then one more, if there is one. */
    private ManholeBirths with(Call last) {
        ManholeBirths y = new ManholeBirths();
        for (Call call : changing) call.on(y);
        if (last != null) last.on(y);
        return y;
    }

    /** Looking wipes out, undoes and goes on from what was kept, so that each look takes an object of its own. */
    private List<Long> picture(Call last) {
        List<Long> found = new ArrayList<>();
        // What more than 512 calls would answer is free.
        int most = MOST_CALLS - changing.size() - 1;
        if (most >= 110) seeNow(with(last), found);
        if (most >= 240) seeRow(with(last), 0, 8, found);
        if (most >= 240) seeRow(with(last), 8, 15, found);
        if (most >= 60) seeSlots(with(last), found);
        if (most >= 60) seeAhead(with(last), found);
        if (most >= 110) seeText(with(last), found);
        return found;
    }

    private static void seeNow(ManholeBirths y, List<Long> found) {
        for (int what = 0; what < 10; what++) found.add((long) y.count(what));
        int joints = y.count(1), pipes = y.count(2), walkers = y.count(3);
        for (int joint = 0; joint < joints; joint++) {
            for (int what = 0; what < 5; what++) found.add((long) y.joint(joint, what));
        }
        for (int pipe = 0; pipe < pipes; pipe++) {
            for (int what = 0; what < 3; what++) found.add((long) y.pipe(pipe, what));
        }
        for (int walker = 0; walker < walkers; walker++) {
            for (int what = 0; what < 8; what++) found.add((long) y.walker(walker, what));
            found.add((long) y.turning(walker));
        }
        found.add((long) y.fault());
        found.add(y.seed(0));
    }

    /** What acts change, told shortly. */
    private static void seeMoment(ManholeBirths y, List<Long> found) {
        found.add((long) y.count(4));
        found.add((long) y.count(6));
        for (int joint = 0; joint < 6; joint++) found.add((long) y.joint(joint, 2));
        for (int pipe = 0; pipe < 8; pipe++) found.add((long) y.pipe(pipe, 2));
        for (int walker = 0; walker < 4; walker++) {
            for (int what = 0; what < 3; what++) found.add((long) y.walker(walker, what));
        }
    }

    /** The moments behind the last so many acts; all of them would take too many calls on one object. */
    private static void seeRow(ManholeBirths y, int from, int to, List<Long> found) {
        for (int i = 0; i < to; i++) {
            found.add((long) y.undo());
            if (i >= from) seeMoment(y, found);
        }
    }

    private static void seeSlots(ManholeBirths y, List<Long> found) {
        for (int slot = 0; slot < 2; slot++) {
            found.add((long) y.again(slot));
            seeMoment(y, found);
        }
    }

    private static void seeAhead(ManholeBirths y, List<Long> found) {
        for (int walker = 0; walker < 4; walker++) {
            for (int what = 0; what < 2; what++) found.add((long) y.comes(walker, what));
            found.add((long) y.mend(walker));
            found.add((long) y.share(walker, true));
            found.add((long) y.flood(walker, 6, 5, true));
            for (int other = 0; other < walker; other++) found.add((long) y.rests(other, walker, 0));
        }
        found.add((long) y.watch());
        found.add((long) y.ahead(30, 1));
        found.add((long) y.judge(4, 10203040));
        found.add((long) y.years(30));
    }

    private static void seeText(ManholeBirths y, List<Long> found) {
        found.add((long) y.net());
        seeNow(y, found);
    }
}
