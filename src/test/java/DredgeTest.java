/** Promises 10 to 12: permits, why one cannot dredge, and dredging. */
public final class DredgeTest {
    private static final int SEA = Saltwedge.NONE;

    public static void main(String[] args) {
        permits();
        reasons();
        dredging();
        wrongDredging();
        Check.end();
    }

    private static Saltwedge two() {
        Saltwedge x = new Saltwedge();
        x.section(1, 0, 0, 100);
        x.section(2, 0, 0, 50);
        return x;
    }

    private static void permits() {
        Saltwedge x = two();
        Check.index("permit(2, 1)", () -> x.permit(2, 1));
        Check.index("permit(-1, -1)", () -> x.permit(-1, -1));
        Check.argument("permit(0, -1)", () -> x.permit(0, -1));
        Check.argument("permit(0, 10001)", () -> x.permit(0, 10001));
        Check.due("permit(0, 10000)", 0, () -> x.permit(0, 10000));
        Check.due("permit(0, 70)", 10000, () -> x.permit(0, 70));
        Check.due("permit(1, 9)", 0, () -> x.permit(1, 9));
        Check.due("dredge(0, 30, SEA)", 40, () -> x.dredge(0, 30, SEA));
        Check.due("permit(0, 5): what is left is gone", 40, () -> x.permit(0, 5));
        Check.due("permit(0, 0)", 5, () -> x.permit(0, 0));
        Check.due("permit(1, 9): that of another section", 9, () -> x.permit(1, 9));
    }

    private static void reasons() {
        Saltwedge x = two();
        Check.index("whyNot(2, 0)", () -> x.whyNot(2, 0));
        Check.index("whyNot(-1, 1)", () -> x.whyNot(-1, 1));
        Check.argument("whyNot(0, 0)", () -> x.whyNot(0, 0));
        Check.argument("whyNot(0, 10001)", () -> x.whyNot(0, 10001));
        Check.due("no permit, and too little mud", 1, () -> x.whyNot(0, 101));
        x.permit(0, 60);
        Check.due("all that is permitted", 0, () -> x.whyNot(0, 60));
        Check.due("more than is permitted", 2, () -> x.whyNot(0, 61));
        Check.due("more than is permitted, and than there is", 2, () -> x.whyNot(0, 10000));
        x.permit(0, 1000);
        Check.due("all the mud", 0, () -> x.whyNot(0, 100));
        Check.due("more than the mud", 3, () -> x.whyNot(0, 101));
        Check.due("another section", 1, () -> x.whyNot(1, 1));
        x.dredge(0, 100, SEA);
        Check.due("no mud left", 3, () -> x.whyNot(0, 1));
        Check.due("whyNot changes nothing", 900, () -> x.permit(0, 0));
        Check.due("the permit is gone", 1, () -> x.whyNot(0, 1));
    }

    private static void dredging() {
        Saltwedge x = two();
        x.permit(0, 60);
        Check.due("dredge(0, 20, 1)", 40, () -> x.dredge(0, 20, 1));
        Check.due("the mud is less", 80, () -> x.ofSection(0, 5));
        Check.due("the level is lower", 80, () -> x.ofSection(0, 6));
        Check.due("the cloud of the other is more", 20, () -> x.ofSection(1, 4));
        Check.due("its mud is not", 50, () -> x.ofSection(1, 5));
        Check.due("no cloud where it was dredged", 0, () -> x.ofSection(0, 4));
        Check.due("nothing to the sea", 0, () -> x.sum(9));
        Check.due("dredge(0, 30, SEA)", 10, () -> x.dredge(0, 30, SEA));
        Check.due("sum(9)", 30, () -> x.sum(9));
        Check.due("the mud", 50, () -> x.ofSection(0, 5));
        Check.due("the same anew", 50, () -> x.ofSectionAnew(0, 5));
        Check.due("the cloud anew", 20, () -> x.ofSectionAnew(1, 4));
        Check.state("dredge(0, 11, SEA)", () -> x.dredge(0, 11, SEA));
        Check.due("dredge(0, 10, SEA)", 0, () -> x.dredge(0, 10, SEA));
        Check.state("dredge(0, 1, SEA)", () -> x.dredge(0, 1, SEA));
        Check.due("sum(9) at the end", 40, () -> x.sum(9));
        Check.due("none was dredged from 1", 50, () -> x.ofSection(1, 5));
        x.permit(1, 100);
        Check.state("more than the mud", () -> x.dredge(1, 51, 0));
        Check.due("all the mud", 50, () -> x.dredge(1, 50, 0));
        Check.due("no mud", 0, () -> x.ofSection(1, 5));
        Check.due("the cloud of 0", 50, () -> x.ofSection(0, 4));
    }

    private static void wrongDredging() {
        Saltwedge x = two();
        x.permit(0, 60);
        Check.index("dredge(2, 1, SEA)", () -> x.dredge(2, 1, SEA));
        Check.index("dredge(-1, 1, 0)", () -> x.dredge(-1, 1, 0));
        Check.index("dredge(-1, 1, -1)", () -> x.dredge(-1, 1, -1));
        Check.index("dredge(0, 1, 2)", () -> x.dredge(0, 1, 2));
        Check.index("dredge(0, 1, -2)", () -> x.dredge(0, 1, -2));
        Check.index("dredge(0, 0, 2)", () -> x.dredge(0, 0, 2));
        Check.index("dredge(2, 1, 2)", () -> x.dredge(2, 1, 2));
        Check.argument("dredge(0, 0, SEA)", () -> x.dredge(0, 0, SEA));
        Check.argument("dredge(0, 10001, SEA)", () -> x.dredge(0, 10001, SEA));
        Check.argument("dredge(0, 1, 0)", () -> x.dredge(0, 1, 0));
        Check.argument("dredge(1, 1, 1): refused as well", () -> x.dredge(1, 1, 1));
        Check.argument("dredge(1, 0, 0): refused as well", () -> x.dredge(1, 0, 0));
        Check.state("dredge(1, 1, 0)", () -> x.dredge(1, 1, 0));
        Check.due("nothing was dredged, 0", 100, () -> x.ofSection(0, 5));
        Check.due("nothing was dredged, 1", 50, () -> x.ofSection(1, 5));
        Check.due("no cloud", 0, () -> x.ofSection(0, 4));
        Check.due("the permit is whole", 60, () -> x.permit(0, 1));
        Check.due("sum(9)", 0, () -> x.sum(9));
    }
}
