import java.util.ArrayList;
import java.util.List;

/** What an object answers when all is asked of it, so that two objects can be compared; it is used up by that. */
final class View {
    private static final int MOST_HOUSES = 8, MOST_DEEDS = 6;

    private final List<String> calls = new ArrayList<>();
    private final List<Long> answers = new ArrayList<>();
    private final MirrorHour x;

    /** First all that changes nothing, then what is kept, then what the text brings. */
    View(MirrorHour x) {
        this.x = x;
        counts();
        houses();
        deeds();
        foretold();
        note("fault()", x.fault());
        for (int k = 0; k < 2; k++) {
            note("back(" + k + ")", x.back(k));
            days();
        }
        note("drop()", x.drop());
        note("forget()", x.forget());
        note("street()", x.street());
        counts();
        houses();
        deeds();
        note("back(0) behind street()", x.back(0));
        note("erase()", x.erase());
    }

    /** Compares two objects in all that they answer. */
    static void alike(String what, View got, View want) {
        for (int i = 0; i < got.calls.size(); i++) {
            Check.due(what + ", then " + got.calls.get(i), got.answers.get(i), want.answers.get(i));
        }
    }

    private void note(String call, long answer) {
        calls.add(call);
        answers.add(answer);
    }

    private void counts() {
        for (int what = 0; what < 6; what++) {
            note("count(" + what + ")", x.count(what));
        }
    }

    private void houses() {
        for (int house = 0; house < MOST_HOUSES; house++) {
            note("house(" + house + ", 0)", x.house(house, 0));
            note("house(" + house + ", 1)", x.house(house, 1));
        }
        days();
    }

    private void days() {
        note("count(2)", x.count(2));
        for (int house = 0; house < MOST_HOUSES; house++) {
            note("house(" + house + ", 2)", x.house(house, 2));
            note("house(" + house + ", 3)", x.house(house, 3));
        }
    }

    private void deeds() {
        for (int deed = 0; deed < MOST_DEEDS; deed++) {
            for (int what = 0; what < 6; what++) {
                note("deed(" + deed + ", " + what + ")", x.deed(deed, what));
            }
            note("as(" + deed + ", 0)", x.as(deed, 0));
        }
    }

    private void foretold() {
        for (int house = MirrorHour.NONE; house < MOST_HOUSES; house++) {
            note("pair(" + house + ")", x.pair(house));
            note("fits(" + house + ")", x.fits(house));
            note("later(" + house + ", 3)", x.later(house, 3));
        }
        note("ways()", x.ways());
        note("again(0)", x.again(0));
        note("again(1)", x.again(1));
        note("sum(9, 0)", x.sum(9, 0));
        note("sum(9, 1)", x.sum(9, 1));
        note("council(9, 40, 0)", x.council(9, 40, 0));
        note("idle(0, 0, 3)", x.idle(0, 0, 3));
        note("town(2)", x.town(2));
    }
}
