#!/bin/sh
# Compiles the program with every test, of the project and of ../shared/tests, runs each, and fails if one fails.
# With names behind it (sh run-tests.sh PromiseTest ..) only those are run.
root=$(cd "$(dirname "$0")" && pwd) || exit 1
shared="$root/../shared"
[ -d "$shared/tests" ] || { echo "no tests at $shared/tests"; exit 1; }
out=$(mktemp -d) || exit 1
trap 'rm -rf "$out"' EXIT
wanted=" $* "
passed=0
failed=0

# run_test FILE SOURCEPATH: a test is a Java file without a package whose main method exits with 1 on a wrong answer
run_test() {
    name=$(basename "$1" .java)
    case "$wanted" in
        "  " | *" $name "*) ;;
        *) return ;;
    esac
    mkdir -p "$out/$name"
    if javac -Xlint:-options -d "$out/$name" -sourcepath "$2" "$root/src/main/java/ChanceRings.java" "$1" \
        && (cd "$root" && java -cp "$out/$name" "$name"); then
        passed=$((passed + 1))
        echo "ok      $name"
    else
        failed=$((failed + 1))
        echo "FAILED  $name"
    fi
}

for file in "$root"/src/test/java/*Test.java; do
    [ -e "$file" ] && run_test "$file" "$root/src/test/java"
done
for file in "$shared"/tests/*.java; do
    [ -e "$file" ] && run_test "$file" "$shared/tests"
done

echo "$passed passed, $failed failed"
[ "$failed" -eq 0 ] && [ "$passed" -gt 0 ]
