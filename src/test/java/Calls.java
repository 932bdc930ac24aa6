import java.lang.reflect.InvocationTargetException;
import java.lang.reflect.Method;
import java.util.ArrayList;
import java.util.List;
import java.util.TreeMap;

/**
 * Calls of a TimeStore written as texts: "tell 0 7 100 42 = 1" is a call and the answer that is due;
 * several are parted by ";". An answer is an int, true, false, "a line in such marks", or one of index,
 * argument and state, the exceptions. Short forms stand for many calls: "6x knock", "fill 0 119" (store 0
 * is told 119 words, about keys 0 to 39 and periods 0 to 2), "ticks 0 950", and K for each key in turn
 * ("endAt 0 K 7"), W for each watcher of 12.
 */
final class Calls {
    /** After so many calls on one object all answers are free. */
    static final int MOST = 512;
    private static final TreeMap<String, Method> FACE = new TreeMap<>();

    static {
        for (Method method : TimeStore.class.getMethods()) {
            if (method.getDeclaringClass() == TimeStore.class) {
                FACE.put(method.getName(), method);
            }
        }
    }

    /** One call; due is null where nothing is said of its answer. */
    record Call(String text, Method method, Object[] arguments, String due) {
    }

    private Calls() {
    }

    static List<Call> read(String text) {
        List<Call> calls = new ArrayList<>();
        for (String part : text.split(";")) {
            if (!part.isBlank()) {
                readPart(part.strip(), calls);
            }
        }
        return calls;
    }

    private static void readPart(String part, List<Call> calls) {
        String[] halves = part.split("=", 2);
        String[] words = halves[0].strip().split(" +");
        String due = halves.length < 2 ? null : halves[1].strip();
        if (words[0].matches("\\d+x")) {
            String once = part.substring(words[0].length()).strip();
            for (int times = Integer.parseInt(words[0].replace("x", "")); times > 0; times--) {
                readPart(once, calls);
            }
        } else if (words[0].equals("fill")) {
            for (int number = 0; number < Integer.parseInt(words[2]); number++) {
                readPart("tell " + words[1] + " " + number % 40 + " " + number / 40 + " 1", calls);
            }
        } else if (words[0].equals("ticks")) {
            for (int left = Integer.parseInt(words[2]); left > 0; left -= 200) {
                readPart("tick " + words[1] + " " + Math.min(left, 200), calls);
            }
        } else if (part.matches(".* [KW]( .*|$)")) {
            for (int number = 0; number < (part.contains(" K") ? 40 : 12); number++) {
                readPart(part.replaceAll(" [KW]( |$)", " " + number + "$1"), calls);
            }
        } else {
            calls.add(call(words, due));
        }
    }

    private static Call call(String[] words, String due) {
        Method method = FACE.get(words[0]);
        if (method == null || method.getParameterCount() != words.length - 1) {
            throw new IllegalArgumentException("no such call: " + String.join(" ", words));
        }
        Object[] arguments = new Object[words.length - 1];
        for (int place = 0; place < arguments.length; place++) {
            String word = words[place + 1];
            boolean isInt = method.getParameterTypes()[place] == int.class;
            arguments[place] = isInt ? (Object) Integer.valueOf(word) : (Object) Boolean.valueOf(word);
        }
        return new Call(String.join(" ", words), method, arguments, due);
    }

    /** The answer as it is written in these texts. */
    static String answer(TimeStore x, Call call) {
        try {
            Object answer = call.method.invoke(x, call.arguments);
            return answer instanceof String ? "\"" + answer + "\"" : String.valueOf(answer);
        } catch (InvocationTargetException thrown) {
            return nameOf(thrown.getCause().getClass());
        } catch (IllegalAccessException thrown) {
            throw new IllegalStateException(thrown);
        }
    }

    /** An exception below one of these is another one: the machine throws it, not the class. */
    private static String nameOf(Class<?> thrown) {
        return thrown == IndexOutOfBoundsException.class ? "index"
                : thrown == IllegalArgumentException.class ? "argument"
                : thrown == IllegalStateException.class ? "state" : thrown.getName();
    }

    static boolean isException(String answer) {
        return answer.matches("[a-z].*") && !answer.equals("true") && !answer.equals("false");
    }

    static TimeStore made(List<Call> calls) {
        TimeStore x = new TimeStore();
        for (Call call : calls) {
            answer(x, call);
        }
        return x;
    }
}
