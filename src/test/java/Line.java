import java.util.ArrayList;
import java.util.Arrays;
import java.util.List;
import java.util.Map;
import java.util.TreeMap;
import java.util.function.Consumer;
import java.util.function.Supplier;

/**
 * One line of refusals of the document: a call that is taken, the numbers at which it is taken still, and all that
 * refuses it, in the order of the line. Each refusal is tried by itself, and with each that comes behind it; and each
 * time the desk is compared with one that was not called: nothing has changed but status().
 */
final class Line {
    interface Call {
        long on(LadderDesk d, int[] v);
    }

    private static final class Fault {
        final int word;
        final Map<Integer, Integer> numbers = new TreeMap<>();
        final Consumer<LadderDesk> state;
        final boolean isEarly;
        /** The first numbers of the call, so many, to which the state belongs. */
        final int about;

        Fault(int word, int... numberAndValue) {
            this.word = word;
            state = d -> { };
            isEarly = false;
            about = 0;
            for (int i = 0; i + 1 < numberAndValue.length; i += 2) {
                numbers.put(numberAndValue[i], numberAndValue[i + 1]);
            }
        }

        Fault(int word, Consumer<LadderDesk> state, boolean isEarly, int about) {
            this.word = word;
            this.state = state;
            this.isEarly = isEarly;
            this.about = about;
        }

        /** Whether it still holds when the other's numbers are told. */
        boolean isLeftBy(Fault other) {
            for (int number : other.numbers.keySet()) {
                if (number < about || numbers.containsKey(number)) {
                    return false;
                }
            }
            return true;
        }
    }

    private final Check c;
    private final String name;
    private final Call call;
    private final int[] base;
    private final List<Fault> faults = new ArrayList<>();
    private final List<int[]> taken = new ArrayList<>();
    private Supplier<LadderDesk> past = Rich::desk;
    private boolean answersZero;

    Line(Check c, String name, Call call, int... base) {
        this.c = c;
        this.name = name;
        this.call = call;
        this.base = base;
    }

    Line on(Supplier<LadderDesk> newPast) {
        past = newPast;
        return this;
    }

    /** read() tells by 0 that it is refused. */
    Line answeringZero() {
        answersZero = true;
        return this;
    }

    Line takes(int number, int... values) {
        for (int value : values) {
            taken.add(with(new Fault(0, number, value)));
        }
        return this;
    }

    Line takesAll(int... numbers) {
        taken.add(numbers);
        return this;
    }

    Line takesWith(int... numberAndValue) {
        taken.add(with(new Fault(0, numberAndValue)));
        return this;
    }

    Line refuses(int word, int number, int... values) {
        for (int value : values) {
            faults.add(new Fault(word, number, value));
        }
        return this;
    }

    Line refusesBeyond(int number, int low, int high) {
        return refuses(Check.BEYOND, number, Check.beyond(low, high));
    }

    /** MISSING: nothing there; KIND: a NOTE, or one of these PLACES. */
    Line refusesHeld(int... ofOtherKind) {
        return refuses(Check.MISSING, 0, Check.NOTHING).refuses(Check.KIND, 0, ofOtherKind)
            .refuses(Check.KIND, 0, Check.NOTE);
    }

    Line refusesWith(int word, int... numberAndValue) {
        faults.add(new Fault(word, numberAndValue));
        return this;
    }

    Line refusesAfter(int word, int about, Consumer<LadderDesk> state) {
        faults.add(new Fault(word, state, false, about));
        return this;
    }

    /** For a state that can't be reached any more once another of the line is. */
    Line refusesAfterEarly(int word, int about, Consumer<LadderDesk> state) {
        faults.add(new Fault(word, state, true, about));
        return this;
    }

    void holds() {
        isTaken(base);
        for (int[] numbers : taken) {
            isTaken(numbers);
        }
        for (int i = 0; i < faults.size(); i++) {
            isRefused(faults.get(i));
            for (int j = i + 1; j < faults.size(); j++) {
                if (faults.get(i).isLeftBy(faults.get(j))) {
                    isRefused(faults.get(i), faults.get(j));
                }
            }
        }
    }

    private int[] with(Fault... all) {
        int[] numbers = base.clone();
        for (Fault f : all) {
            f.numbers.forEach((number, value) -> numbers[number] = value);
        }
        return numbers;
    }

    /** The state of the first comes last, so that it holds whatever the other one does. */
    private LadderDesk deskWith(Fault... all) {
        LadderDesk d = past.get();
        for (boolean early : new boolean[] {true, false}) {
            for (int i = all.length - 1; i >= 0; i--) {
                if (all[i].isEarly == early) {
                    all[i].state.accept(d);
                }
            }
        }
        return d;
    }

    private void isTaken(int[] numbers) {
        LadderDesk d = past.get();
        LadderDesk before = past.get();
        long answer = call.on(d, numbers);
        for (int by = Check.FULL; by <= Check.MISSING; by++) {
            c.due(told(numbers) + " is taken, with " + answer + "; status " + by, d.status(by), before.status(by));
        }
    }

    /** By the first of them. */
    private void isRefused(Fault... all) {
        int[] numbers = with(all);
        int word = all[0].word;
        for (Rich.Reading reading : Rich.readings(word)) {
            LadderDesk called = deskWith(all);
            LadderDesk other = deskWith(all);
            c.due(told(numbers), call.on(called, numbers), answersZero ? 0 : word);
            Rich.Answers of = new Rich.Answers();
            Rich.Answers due = new Rich.Answers();
            reading.of(called, of);
            reading.of(other, due);
            c.due(told(numbers) + " by " + word + " has changed answer", of.firstUnlike(due), -1);
            for (int by = Check.FULL; by <= Check.MISSING; by++) {
                c.due(told(numbers) + " by " + word + ": status " + by, called.status(by) - other.status(by),
                    by == word ? 1 : 0);
            }
        }
    }

    private String told(int[] numbers) {
        return name + Arrays.toString(numbers);
    }
}
