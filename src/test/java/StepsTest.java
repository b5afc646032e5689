import java.util.ArrayList;
import java.util.List;
import java.util.function.Consumer;
import java.util.function.Predicate;

/** The boundary cases of steps: which calls are, the latest 20, and what another one does. */
public final class StepsTest extends Sheet {
    private StepsTest() { }

    public static void main(String[] args) {
        eachKindIsAStep();
        whatChangesNothingIsAStepToo();
        whatIsNoStep();
        noStepEndsNothing();
        noneToBeDone();
        latestTwenty();
        twentyFirstForgetsTheFirst();
        manyMoreThanTwenty();
        stepsEndingAtEachPlace();
        anotherStepEndsWhatWasDoneBack();
        anotherStepOfEachKind();
        anotherStepAfterTwentyBack();
        backAndAgainInTurn();
        trackingAndViewStay();
        backToNoParagraphs();
        backToWhatWasAtFirst();
        backFromFull();
        upToTheLastCall();
        Check.finish();
    }

    private static void some(Counted y) {
        y.insert(0, 1);
        y.insert(1, 2);
        y.add(0, 4, 1);
        y.add(0, 5, 0);
        y.mark(1, 3);
        y.track(true, 0);
        y.drop(0);
        y.add(1, -4, 2);
    }

    private static void kind(String name, Consumer<Counted> call) {
        start("STEPS: " + name + " is kept, done back and done again");
        some(x);
        List<Integer> before = everything(x);
        call.accept(x);
        List<Integer> after = everything(x);
        due("it does something", before.equals(after), false);
        due("kept", after.get(3), before.get(3) + 1);
        due("back", x.step(true), true);
        List<Integer> then = everything(x);
        due("one can be done again", then.get(4), 1);
        then.set(4, 0);
        due("as before", then, before);
        due("again", x.step(false), true);
        due("as after", everything(x), after);
    }

    private static void eachKindIsAStep() {
        kind("insert", y -> y.insert(1, 5));
        kind("remove", y -> y.remove(0));
        kind("restyle", y -> y.restyle(0, 4));
        kind("mark", y -> y.mark(0, 7));
        kind("mark -1", y -> y.mark(1, -1));
        kind("add", y -> y.add(1, 9, 3));
        kind("add of a reference", y -> y.add(1, -8, 0));
        kind("drop to GONE", y -> y.drop(0));
        kind("drop of one NEW", y -> y.drop(1));
        kind("style", y -> y.style(1, LEFT, 10));
        kind("page", y -> y.page(60, 30, 2));
        kind("resolve, accepted", y -> y.resolve(0, true));
        kind("resolve, rejected", y -> y.resolve(0, false));
        kind("resolve of one NEW, accepted", y -> y.resolve(1, true));
        kind("resolve of one NEW, rejected", y -> y.resolve(1, false));
        for (int i = 0; i < 12; i++) {
            int what = i;
            kind("style " + what, y -> y.style(2, what, what == HEIGHT ? 2 : 1));
        }
    }

    private static void whatChangesNothingIsAStepToo() {
        start("STEPS: each if it was not BAD, FULL, false, nor resolve 0");
        x.insert(0, 2);
        due("the same style", x.restyle(0, 2), true);
        due("a step", x.total(3), 2);
        due("the same mark", x.mark(0, -1), true);
        due("a step", x.total(3), 3);
        due("the same of a style", x.style(0, HEIGHT, 1), true);
        due("a step", x.total(3), 4);
        due("the same page", x.page(40, 20, 1), true);
        due("a step", x.total(3), 5);
    }

    private static boolean none(Counted y) {
        y.track(true, 1);
        y.track(true, 3);
        y.insert(9, 0);
        y.insert(0, 6);
        y.remove(9);
        y.restyle(0, 6);
        y.mark(0, 8);
        y.add(0, 0, 0);
        y.add(9, 1, 0);
        y.drop(9);
        y.style(0, 12, 0);
        y.page(40, 20, 3);
        y.resolve(9, true);
        y.resolve(0, true);
        y.resolve(0, false);
        y.paragraph(0, 0);
        y.line(0, 0, 0);
        y.word(0, 0);
        y.column(0, 0);
        y.total(0);
        return true;
    }

    private static void whatIsNoStep() {
        start("STEPS: what is none");
        x.insert(0, 0);
        none(x);
        due("the insert alone", x.total(3), 1);
        start("STEPS: an insert that was FULL is none");
        for (int p = 0; p < 24; p++) {
            x.insert(p, p % 6);
        }
        x.mark(0, 0);
        x.step(true);
        due("FULL", x.insert(0, 0), -2);
        due("back", x.total(3), 19);
        due("again", x.total(4), 1);
        start("STEPS: an add that was FULL is none");
        x.insert(0, 0);
        for (int w = 0; w < 16; w++) {
            x.add(0, 1, 0);
        }
        x.mark(0, 0);
        x.step(true);
        due("FULL", x.add(0, 1, 0), -2);
        due("back", x.total(3), 17);
        due("again", x.total(4), 1);
    }

    private static void noStepEndsNothing() {
        start("to be done again, till there is another STEP, which these are not");
        x.insert(0, 0);
        x.mark(0, 4);
        x.restyle(0, 3);
        x.step(true);
        x.step(true);
        none(x);
        due("two can be done again", x.total(4), 2);
        x.step(false);
        due("the mark", x.paragraph(0, 3), 4);
        x.step(false);
        due("the style", x.paragraph(0, 2), 3);
    }

    private static void noneToBeDone() {
        start("12: false if there is none");
        due("back", x.step(true), false);
        due("again", x.step(false), false);
        x.insert(0, 0);
        due("none was done back", x.step(false), false);
        due("back", x.step(true), true);
        due("no more back", x.step(true), false);
        due("still one again", x.total(4), 1);
        due("again", x.step(false), true);
        due("no more again", x.step(false), false);
        due("still one back", x.total(3), 1);
    }

    /** One paragraph, and then so many steps more, by the marks 0, 1, .. 7, 0, .. */
    private static void marks(int count) {
        x.insert(0, 0);
        for (int i = 0; i < count; i++) {
            x.mark(0, i % 8);
        }
    }

    private static void latestTwenty() {
        for (int steps = 19; steps <= 21; steps++) {
            start("at most the latest 20, of " + steps);
            marks(steps - 1);
            int kept = steps > 20 ? 20 : steps;
            due("kept", x.total(3), kept);
            for (int i = 0; i < kept; i++) {
                due("back " + i, x.step(true), true);
                due("fewer", x.total(3), kept - 1 - i);
                due("more again", x.total(4), i + 1);
            }
            due("no more", x.step(true), false);
            due("paragraphs then", x.total(2), steps > 20 ? 1 : 0);
        }
    }

    private static void twentyFirstForgetsTheFirst() {
        start("at most the latest 20, the first of 21 is forgotten");
        marks(20);
        due("20", x.total(3), 20);
        for (int i = 19; i >= 1; i--) {
            x.step(true);
            due("mark before " + i, x.paragraph(0, 3), (i - 1) % 8);
        }
        due("the twentieth", x.step(true), true);
        due("before the first mark", x.paragraph(0, 3), -1);
        due("the insert stays", x.step(true), false);
        due("it is there", x.total(2), 1);
        for (int i = 0; i < 20; i++) {
            due("again " + i, x.step(false), true);
            due("mark " + i, x.paragraph(0, 3), i % 8);
        }
        due("no more", x.step(false), false);
        due("all can be done back", x.total(3), 20);
    }

    private static void manyMoreThanTwenty() {
        start("at most the latest 20, of some 400");
        marks(399);
        due("20", x.total(3), 20);
        due("none again", x.total(4), 0);
        for (int i = 398; i >= 379; i--) {
            due("mark " + i, x.paragraph(0, 3), i % 8);
            x.step(true);
        }
        due("mark before the latest 20", x.paragraph(0, 3), 378 % 8);
        due("no more", x.step(true), false);
        due("again", x.total(4), 20);
    }

    /** However many steps there were, the latest 20 come back, and again. */
    private static void stepsEndingAtEachPlace() {
        for (int count = 20; count <= 64; count++) {
            start("at most the latest 20, of " + (count + 1));
            marks(count);
            boolean right = x.total(3) == 20;
            for (int i = count - 1; i >= count - 20; i--) {
                right = x.paragraph(0, 3) == i % 8 && x.step(true) && right;
            }
            right = x.paragraph(0, 3) == (count == 20 ? -1 : (count - 21) % 8) && !x.step(true) && right;
            for (int i = count - 20; i < count; i++) {
                right = x.step(false) && x.paragraph(0, 3) == i % 8 && right;
            }
            due("back and again", right && !x.step(false), true);
        }
    }

    private static void anotherStepEndsWhatWasDoneBack() {
        start("to be done again, till there is another STEP");
        marks(6);
        x.step(true);
        x.step(true);
        x.step(true);
        due("three again", x.total(4), 3);
        due("four back", x.total(3), 4);
        x.restyle(0, 5);
        due("none again", x.total(4), 0);
        due("not one", x.step(false), false);
        due("five back", x.total(3), 5);
        due("the mark is the third one", x.paragraph(0, 3), 2);
        x.step(true);
        due("its style is back", x.paragraph(0, 2), 0);
        due("the mark stays", x.paragraph(0, 3), 2);
        x.step(true);
        due("the mark before", x.paragraph(0, 3), 1);
        x.step(false);
        x.step(false);
        due("the style again, and none of those that ended", x.paragraph(0, 2), 5);
        due("no more", x.total(4), 0);
    }

    private static void anotherStepOfEachKind() {
        List<Predicate<Counted>> kinds = new ArrayList<>();
        kinds.add(y -> y.insert(0, 0) > 0);
        kinds.add(y -> y.remove(1) > 0);
        kinds.add(y -> y.restyle(0, 1));
        kinds.add(y -> y.mark(0, -1));
        kinds.add(y -> y.add(0, 1, 0) > 0);
        kinds.add(y -> y.drop(0) > 0);
        kinds.add(y -> y.style(0, LEFT, 0));
        kinds.add(y -> y.page(40, 20, 1));
        kinds.add(y -> y.resolve(0, true) > 0);
        for (int i = 0; i < kinds.size(); i++) {
            start("till there is another STEP, of kind " + i);
            some(x);
            x.mark(0, 1);
            x.mark(0, 2);
            x.step(true);
            x.step(true);
            int back = x.total(3);
            due("it is done", kinds.get(i).test(x), true);
            due("none again", x.total(4), 0);
            due("one more back", x.total(3), back + 1);
        }
    }

    private static void anotherStepAfterTwentyBack() {
        start("another STEP where 20 were done back");
        marks(30);
        for (int i = 0; i < 20; i++) {
            x.step(true);
        }
        due("mark", x.paragraph(0, 3), 9 % 8);
        x.restyle(0, 5);
        due("one back", x.total(3), 1);
        due("none again", x.total(4), 0);
        due("it is done back", x.step(true), true);
        due("style", x.paragraph(0, 2), 0);
        due("mark", x.paragraph(0, 3), 1);
        due("those before stay forgotten", x.step(true), false);
    }

    private static void backAndAgainInTurn() {
        start("12: the latest STEP that can be, the latest one that was done back");
        marks(8);
        for (int turn = 0; turn < 10; turn++) {
            x.step(true);
            x.step(true);
            due("two back", x.paragraph(0, 3), 5);
            x.step(false);
            due("one again: the latest done back is the earlier one", x.paragraph(0, 3), 6);
            x.step(false);
            due("two again", x.paragraph(0, 3), 7);
            due("back", x.total(3), 9);
        }
    }

    private static void trackingAndViewStay() {
        start("STEPS: track is none, so TRACKING and VIEW stay");
        x.insert(0, 0);
        x.add(0, 3, 0);
        x.add(0, 4, 0);
        x.track(true, 1);
        x.drop(0);
        x.step(true);
        x.step(true);
        due("done back up to before tracking was on", x.total(3), 2);
        x.add(0, 5, 0);
        due("it is on", x.paragraph(0, 5), 1);
        x.drop(0);
        x.drop(0);
        due("the view is 1", x.word(0, 0), -100);
        x.track(false, 0);
        x.step(true);
        x.step(false);
        due("what was GONE is done again as it was", x.paragraph(0, 5), 1);
        due("the view is 0", x.word(0, 0), 0);
        x.step(true);
        due("tracking is off: it is no more", x.drop(0), 0);
    }

    private static void backToNoParagraphs() {
        start("a step back to no paragraphs");
        x.insert(0, 3);
        x.add(0, 30, 3);
        x.step(true);
        x.step(true);
        due("paragraphs", x.total(2), 0);
        due("columns", x.total(0), 0);
        due("rounds", x.total(1), 1);
        due("no line", x.line(0, 0, 0), -1);
        due("no word to drop", x.drop(0), -1);
        due("again", x.step(false), true);
        due("a paragraph", x.paragraph(0, 2), 3);
        due("without a word", x.paragraph(0, 4), 0);
        due("again", x.step(false), true);
        due("with its note", x.column(0, 3), 3);
    }

    private static void backToWhatWasAtFirst() {
        start("a step back to what was at first");
        x.page(80, 60, 2);
        x.style(0, HEIGHT, 4);
        x.style(5, LEFT, 9);
        x.step(true);
        x.step(true);
        x.step(true);
        x.insert(0, 0);
        x.insert(1, 5);
        due("the page", x.line(0, 0, 5), 40);
        due("a style", x.column(0, 4), 2);
        due("another style", x.line(1, 0, 4), 0);
        due("steps", x.total(3), 2);
    }

    private static void backFromFull() {
        start("a step back from FULL");
        for (int p = 0; p < 24; p++) {
            x.insert(p, 0);
        }
        due("full", x.insert(24, 0), -2);
        x.step(true);
        due("not full", x.insert(0, 5), 24);
        due("full", x.insert(0, 0), -2);
        for (int w = 0; w < 16; w++) {
            x.add(0, 2, 0);
        }
        due("full", x.add(0, 1, 0), -2);
        x.step(true);
        due("not full", x.add(0, 1, 0), 16);
        due("full", x.add(0, 1, 0), -2);
        x.step(true);
        x.step(false);
        due("full again", x.add(0, 1, 0), -2);
    }

    private static void upToTheLastCall() {
        start("an object is used for at most 512 calls");
        x.insert(0, 0);
        for (int i = 0; i < 509; i++) {
            x.mark(0, i % 8);
        }
        due("the 511th", x.total(3), 20);
        due("one left", x.callsLeft(), 1);
        due("the 512th", x.paragraph(0, 3), 508 % 8);
    }
}
