/** What README.md shows: the same calls in the same order, with the answers that it tells. */
public final class ReadmeTest {
    public static void main(String[] args) {
        PolyRegisters bench = new PolyRegisters();
        Check.due("add", 3, () -> bench.add(3, 0, 1));
        Check.due("write", 17, () -> bench.write(3));
        Check.due("writtenAt", (int) 'x', () -> bench.writtenAt(0));
        Check.due("the text", "x^3 + x^2 - x - 2", () -> Check.written(bench, 3));
        Check.due("undo", 0, () -> bench.undo());
        Check.due("the register after undo", "0", () -> Check.written(bench, 3));
        toldNumbers(bench);
        texts(bench);
        refusals(bench);
        Check.end();
    }

    private static void toldNumbers(PolyRegisters bench) {
        Check.due("value", -1, () -> bench.value(2, 2, 5));
        Check.due("value's top", -1L, () -> bench.low(false));
        Check.due("value's bottom", 25L, () -> bench.low(true));
        Check.due("digits", 2, () -> bench.digits(true));
        Check.due("digit", 5, () -> bench.digit(true, 0));
        Check.due("fractionRoots", 2, () -> bench.fractionRoots(2));
        Check.due("fractionRoot", 1, () -> bench.fractionRoot(2, 0));
        Check.due("the least root", "1/3", () -> Check.told(bench, 1));
        Check.due("closeIn", 1, () -> bench.closeIn(0, 1, 20));
        Check.due("root of 2", 1482910L, () -> bench.low(false));
    }

    private static void texts(PolyRegisters bench) {
        Check.due("append", 5, () -> bench.append(0x785e322d, 0x31000000, 0, 0, 0));
        Check.due("read", 2, () -> bench.read(4));
        Check.due("the register read", "x^2 - 1", () -> Check.written(bench, 4));
        Check.due("append a wrong text", 2, () -> bench.append(0x782b0000, 0, 0, 0, 0));
        Check.due("read a wrong text", Check.ARGUMENT, () -> bench.read(4));
        Check.due("errorPosition", 2, () -> bench.errorPosition());
    }

    private static void refusals(PolyRegisters bench) {
        Check.due("no such register", Check.INDEX, () -> bench.degree(6));
        Check.due("degree 24", Check.STATE, () -> bench.power(5, 0, 12));
        Check.due("division by 0", Check.ARITHMETIC, () -> bench.divide(3, 5, 0, 5));
    }
}
